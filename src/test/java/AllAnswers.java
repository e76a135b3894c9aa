/** All that a house answers of itself, the past and the future of it too: nothing is left to ask it then. */
final class AllAnswers {
    private final GriefDoors x;
    private final StringBuilder answers = new StringBuilder();

    private AllAnswers(GriefDoors x) {
        this.x = x;
    }

    static String of(GriefDoors x) {
        AllAnswers all = new AllAnswers(x);
        all.counts();
        all.people();
        all.whatIsSeen();
        all.pairs();
        all.drawers();
        all.add(x.fault());
        all.undone();
        all.kept();
        all.told();
        return all.answers.toString();
    }

    private void add(int answer) {
        answers.append(answer).append(' ');
    }

    private void counts() {
        for (int what = 0; what < 10; what++) {
            add(x.count(what));
        }
    }

    private void people() {
        int many = x.count(0);
        for (int one = 0; one < many; one++) {
            answers.append("| ");
            add(x.person(one, 0));
            griefs(one);
        }
    }

    private void griefs(int one) {
        for (int k = 0; k < 3; k++) {
            add(x.grief(one, k));
        }
    }

    private void whatIsSeen() {
        answers.append("| seen ");
        int many = x.count(0);
        for (int one = 0; one < many; one++) {
            add(x.kinds(one, 0));
            add(x.kinds(one, 1));
        }
    }

    private void pairs() {
        answers.append("| pairs ");
        add(x.count(1));
        add(x.wrong());
        for (int k = -1; k < 7; k++) {
            add(x.ranked(k));
        }
        add(x.lines());
        add(x.next());
    }

    private void drawers() {
        for (int drawer = 0; drawer < 4; drawer++) {
            answers.append("| drawer ");
            for (int i = 0; i < 11; i++) {
                int number = x.take(drawer, i, 0);
                add(number);
                if (number == GriefDoors.CAST) {
                    add(x.take(drawer, i, 1));
                    add(x.take(drawer, i, 2));
                }
            }
        }
    }

    private void undone() {
        int left = 0;
        for (int k = 0; k < 9 && left >= 0; k++) {
            answers.append("| undo ");
            left = x.undo();
            add(left);
            add(x.count(2));
            if (left >= 0) {
                allGriefs();
            }
        }
    }

    private void kept() {
        for (int k = 0; k < 2; k++) {
            answers.append("| back ");
            int lent = x.back(k);
            add(lent);
            if (lent >= 0) {
                allGriefs();
            }
        }
    }

    private void allGriefs() {
        int many = x.count(0);
        for (int one = 0; one < many; one++) {
            griefs(one);
        }
    }

    /** What THE TEXT tells, or else a text that only shows what earlier ones told. */
    private void told() {
        answers.append("| told ");
        int done = x.house();
        add(done);
        if (done < 0) {
            add(x.erase());
            add(Due.tell(x, x.count(0) < 7 ? "saint 7" : "pair 0 1"));
        }
        people();
        pairs();
    }
}
