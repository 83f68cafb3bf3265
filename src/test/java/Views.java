/**
 * What an object answers from here on. Each part is asked of another object with the same history, so that none
 * is used for more calls than the document allows, and so that the object itself is left alone.
 */
final class Views {
    private interface Part {
        void tell(Counted x, StringBuilder all);
    }

    private Views() {
    }

    static String of(Counted x) {
        StringBuilder all = new StringBuilder();
        tell(x, Views::people, all);
        tell(x, Views::notes, all);
        tell(x, Views::wants, all);
        tell(x, Views::months, all);
        tell(x, Views::loans, all);
        tell(x, Views::newcomers, all);
        for (int c = 0; c < x.circles(); c++) {
            int circle = c;
            tell(x, (y, text) -> circle(y, circle, text), all);
            tell(x, (y, text) -> meetings(y, circle, text), all);
        }
        return all.toString();
    }

    private static void tell(Counted x, Part part, StringBuilder all) {
        part.tell(x.again(), all);
        all.append('\n');
    }

    private static void people(Counted x, StringBuilder all) {
        for (int p = 0; p < x.people(); p++) {
            all.append("\nperson ").append(p).append(':');
            for (int what = 0; what <= 6; what++) {
                all.append(' ').append(x.of(p, what));
            }
        }
        all.append("\ncash ").append(x.cash()).append(" coins ").append(x.coins()).append(" audits");
        for (int book = 0; book <= 2; book++) {
            all.append(' ').append(x.audit(book));
        }
    }

    private static void purses(Counted x, StringBuilder all) {
        all.append("\npurses");
        for (int p = 0; p < x.people(); p++) {
            all.append(' ').append(x.of(p, 0));
        }
    }

    private static void circle(Counted x, int circle, StringBuilder all) {
        all.append("\ncircle ").append(circle).append(':');
        for (int what = 0; what <= 4; what++) {
            all.append(' ').append(x.ofCircle(circle, what));
        }
        for (int p = 0; p < x.people(); p++) {
            all.append("\nmember ").append(p).append(" of circle ").append(circle).append(':');
            for (int what = 0; what <= 3; what++) {
                all.append(' ').append(x.member(circle, p, what));
            }
        }
    }

    private static void notes(Counted x, StringBuilder all) {
        for (int p = 0; p < x.people(); p++) {
            all.append("\nnotes of ").append(p).append(':');
            for (int book = 0; book <= 2; book++) {
                all.append(' ').append(x.note(book, p, 0));
            }
        }
    }

    private static void wants(Counted x, StringBuilder all) {
        for (int c = 0; c < x.circles(); c++) {
            int circle = c;
            for (int p = 0; p < x.people(); p++) {
                int person = p;
                answer("need", x, y -> y.want(circle, person, 0, false), all);
                answer("bid", x, y -> y.want(circle, person, 0, true), all);
            }
        }
    }

    private static void earnAll(Counted x, StringBuilder all) {
        for (int p = 0; p < x.people(); p++) {
            int person = p;
            answer("earn", x, y -> y.earn(person, 1000 + person), all);
        }
    }

    /** So many that each loan is in default at last: so its age comes out, and who vouches for it. */
    private static void months(Counted x, StringBuilder all) {
        earnAll(x, all);
        for (int month = 1; month <= 7; month++) {
            answer("month", x, y -> y.month(false), all);
            purses(x, all);
        }
        people(x, all);
    }

    private static void loans(Counted x, StringBuilder all) {
        int people = x.people();
        earnAll(x, all);
        for (int p = 0; p < people; p++) {
            int person = p;
            answer("repay", x, y -> y.repay(person, 10000), all);
            answer("borrow", x, y -> y.borrow(person, 20, (person + 1) % people, (person + 2) % people), all);
            answer("repay", x, y -> y.repay(person, 10000), all);
        }
        answer("feast", x, Counted::feast, all);
        purses(x, all);
    }

    private static void newcomers(Counted x, StringBuilder all) {
        answer("person", x, y -> y.person(30, 12345), all);
        answer("circle", x, y -> y.circle(5, SusuRing.NEED), all);
        people(x, all);
    }

    private static void meetings(Counted x, int circle, StringBuilder all) {
        answer("start", x, y -> y.start(circle, 5), all);
        answer("meet", x, y -> y.meet(circle, false), all);
        purses(x, all);
        earnAll(x, all);
        for (int meeting = 0; meeting < 4; meeting++) {
            answer("meet", x, y -> y.meet(circle, false), all);
            all.append(" the box ").append(x.ofCircle(circle, 0));
        }
        purses(x, all);
        circle(x, circle, all);
    }

    private static void answer(String call, Counted x, Check.Call asked, StringBuilder all) {
        int[] answered = {0};
        String thrown = Check.thrownBy(() -> answered[0] = asked.on(x));
        all.append('\n').append(call).append(" throws ").append(thrown).append(", answers ").append(answered[0]);
    }
}
