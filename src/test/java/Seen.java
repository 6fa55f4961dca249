/** All that can be seen of an object without changing it. */
final class Seen {
    private Seen() {
    }

    /** CRIES, wind, snow, SEED, NOONS, VERDICTS: what a BOX keeps and ACTS change. */
    static String earnest(CliffJudges x) {
        StringBuilder all = new StringBuilder("wind, SEED, NOONS:");
        for (int what = 5; what <= 7; what++) {
            all.append(' ').append(x.about(what));
        }
        for (int cry = 0; cry < 2; cry++) {
            all.append("\nCRY ").append(cry).append(':');
            for (int i = 0; i < x.about(8 + cry); i++) {
                all.append(' ').append(x.said(cry, i));
            }
        }
        all.append("\nsnow:");
        for (int cliff = 0; cliff < x.about(0); cliff++) {
            all.append(' ').append(x.cliff(cliff, 1));
        }
        all.append("\nVERDICTS:");
        for (int man = 0; man < x.about(2); man++) {
            all.append(' ').append(x.man(man, 2)).append(',').append(x.man(man, 3)).append(',').append(x.man(man, 4));
        }
        return all.append('\n').toString();
    }

    /** The HILLS, the latest FAULT, how many ACTS are kept, SOUNDS, the TIME, how long the TAPE is. */
    static String told(CliffJudges x) {
        StringBuilder all = new StringBuilder("about:");
        int[] whats = {0, 1, 2, 3, 4, 10, 11, 12, 13, 14, 15};
        for (int what : whats) {
            all.append(' ').append(x.about(what));
        }
        all.append("\nFAULT: ").append(x.fault(0)).append(' ').append(x.fault(1)).append("\nplaces, voices:");
        for (int cliff = 0; cliff < x.about(0); cliff++) {
            all.append(' ').append(x.cliff(cliff, 0));
        }
        for (int man = 0; man < x.about(2); man++) {
            all.append(' ').append(x.man(man, 0)).append(',').append(x.man(man, 1));
        }
        all.append("\nleads:");
        for (int state = 0; state < x.about(3); state++) {
            for (int word = 0; word < x.about(1); word++) {
                all.append(' ').append(x.leads(state, word));
            }
        }
        all.append("\nstood:");
        int time = x.about(13);
        for (int k : new int[] {-1, 0, time - 1, time, Integer.MAX_VALUE}) {
            all.append(' ').append(x.stood(0, k)).append(',').append(x.stood(1, k)).append(',').append(x.stood(2, k));
        }
        return all.append('\n').toString();
    }

    static String lying(CliffJudges x) {
        StringBuilder all = new StringBuilder("lies:");
        for (int i = 0; i < x.about(16); i++) {
            all.append(' ').append(x.lies(i));
        }
        return all.append('\n').toString();
    }
}
