/** What every test of the project counts with: a line for each answer that is not the one that is due. */
final class Due {
    private int wrong = 0;
    private int asked = 0;

    void due(int promise, String call, int got, int want) {
        asked++;
        if (got != want) {
            wrong++;
            System.out.println("promise " + promise + ": " + call + " answered " + got + ", due is " + want);
        }
    }

    void due(int promise, String call, String got, String want) {
        asked++;
        if (!got.equals(want)) {
            wrong++;
            System.out.println("promise " + promise + ": " + call + " answered " + got + ", due is " + want);
        }
    }

    void isSo(String what, boolean so) {
        asked++;
        if (!so) {
            wrong++;
            System.out.println("not so: " + what);
        }
    }

    void end(String test) {
        System.out.println(test + ": " + asked + " asked, " + wrong + " wrong");
        if (wrong > 0 || asked == 0) {
            System.exit(1);
        }
    }

    /** A new house of which this is told. */
    static GriefDoors houseOf(String text) {
        GriefDoors x = new GriefDoors();
        tell(x, text);
        return x;
    }

    static int tell(GriefDoors x, String text) {
        write(x, text);
        return x.house();
    }

    static void write(GriefDoors x, String text) {
        for (int k = 0; k < text.length(); k++) {
            x.write(text.charAt(k));
        }
    }

    /** The fault of a text in this house, whose own text is empty again then. */
    static int faultOf(GriefDoors x, String text) {
        x.erase();
        write(x, text);
        int fault = x.fault();
        x.erase();
        return fault;
    }

    /** All that a house answers of itself, so that "nothing changes" can be looked at. */
    static String stateOf(GriefDoors x) {
        StringBuilder state = new StringBuilder();
        for (int what = 0; what < 10; what++) {
            state.append(x.count(what)).append(' ');
        }
        for (int one = 0; one < x.count(0); one++) {
            state.append("| ").append(x.person(one, 0)).append(' ').append(x.kinds(one, 0)).append(x.kinds(one, 1));
            for (int k = 0; k < 3; k++) {
                state.append(' ').append(x.grief(one, k));
            }
        }
        state.append("| ").append(x.wrong()).append(' ').append(x.ranked(-1)).append(' ').append(x.lines());
        for (int drawer = 0; drawer < 4; drawer++) {
            state.append("| ");
            for (int i = 0; i < 11; i++) {
                for (int what = 0; what < 3; what++) {
                    state.append(x.take(drawer, i, what)).append(' ');
                }
            }
        }
        return state.toString();
    }

    private Due() {
    }

    static Due begin() {
        return new Due();
    }
}
