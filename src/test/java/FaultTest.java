import java.util.Random;

/** Texts by chance, most of them broken: the FAULT and its place are the model's. */
public final class FaultTest {
    private static final int TEXTS = 60000;

    public static void main(String[] args) {
        Due due = new Due();
        Random random = new Random(11);
        Texts texts = new Texts(random);
        int[] faults = new int[6];
        CliffJudges x = null;
        for (int i = 0; i < TEXTS; i++) {
            // Four texts of 1,600 bytes are well below the 512 calls that an object is good for.
            x = i % 4 == 0 ? new CliffJudges() : x;
            String text = texts.broken(8);
            ModelHills model = new ModelHills(text);
            int cliffs = Due.tell(x, text);
            due.same("hills of\n" + text + "\n", cliffs, model.fault == 0 ? model.cliffs.size() : -1);
            due.same("fault(0) of\n" + text + "\n", x.fault(0), model.fault);
            due.same("fault(1) of\n" + text + "\n", x.fault(1), model.place);
            faults[model.fault]++;
        }
        for (int fault = 0; fault < faults.length; fault++) {
            due.yes("there were texts with FAULT " + fault, faults[fault] > TEXTS / 200);
            System.out.println("FAULT " + fault + ": " + faults[fault]);
        }
        due.close();
    }
}
