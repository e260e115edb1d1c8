import java.util.ArrayList;
import java.util.List;
import java.util.function.Function;

/**
 * All that can be asked of a campaign, and what it answers to the calls that tell what it keeps:
 * what can be taken back, what was saved, the input buffer, the weather to come. One line for each
 * question; new objects with the same calls before answer, so that none makes more than 512 calls.
 */
final class Sight {
    private static final int MOST_UNDONE = 9;
    /** What a change that is looked behind may take of the calls. */
    private static final int SPARE = 40;
    private static final int ROUNDS = 12;
    private static final List<Question> QUESTIONS = questions();
    private static final List<Question> SHORT = shortQuestions();

    private record Question(String name, Function<HexCampaign, Object> asked) {
        String line(HexCampaign x) {
            try {
                return name + ": " + asked.apply(x);
            } catch (RuntimeException e) {
                return name + ": " + e.getClass().getSimpleName();
            }
        }
    }

    private Sight() {
    }

    private static List<Question> questions() {
        List<Question> all = new ArrayList<>();
        addCounts(all);
        addSides(all);
        for (int cell = 0; cell < 63; cell++) {
            addCell(all, cell);
        }
        for (int unit = 0; unit < 16; unit++) {
            addUnit(all, unit);
        }
        addText(all);
        return all;
    }

    /** Few questions that tell the whole state that is saved and taken back, but for the weather to come. */
    private static List<Question> shortQuestions() {
        List<Question> all = new ArrayList<>();
        addCounts(all);
        addSides(all);
        for (int unit = 0; unit < 16; unit++) {
            addNumbers(all, unit);
        }
        addText(all);
        return all;
    }

    private static void addCounts(List<Question> all) {
        for (int what = 0; what < 8; what++) {
            int w = what;
            all.add(new Question("count " + what, x -> x.count(w)));
        }
        all.add(new Question("balance", HexCampaign::balance));
    }

    private static void addSides(List<Question> all) {
        for (int side = 0; side < 2; side++) {
            int s = side;
            all.add(new Question("known " + side, x -> x.known(s)));
            for (int what = 0; what < 6; what++) {
                int w = what;
                all.add(new Question("account " + side + " " + what, x -> x.account(s, w)));
            }
            for (int what = 0; what < 5; what++) {
                int w = what;
                all.add(new Question("cells " + side + " " + what, x -> x.cells(s, w)));
            }
        }
    }

    private static void addCell(List<Question> all, int cell) {
        for (int what = 0; what < 5; what++) {
            int w = what;
            all.add(new Question("cell " + cell + " " + what, x -> x.cell(cell, w)));
        }
        for (int side = 0; side < 2; side++) {
            int s = side;
            all.add(new Question("supplyCost " + side + " " + cell, x -> x.supplyCost(s, cell)));
        }
        all.add(new Question("isSeen 31 " + cell, x -> x.isSeen(31, cell)));
        for (int direction = 0; direction < 6; direction++) {
            int other = Grid.neighbor(cell, direction);
            if (other >= 0) {
                all.add(new Question("attack " + cell + " " + other, x -> x.odds(cell, other, false)));
                all.add(new Question("defense " + cell + " " + other, x -> x.odds(cell, other, true)));
            }
        }
    }

    private static void addNumbers(List<Question> all, int unit) {
        for (int what = 0; what < 10; what++) {
            int w = what;
            all.add(new Question("unit " + unit + " " + what, x -> x.unit(unit, w)));
        }
    }

    private static void addUnit(List<Question> all, int unit) {
        addNumbers(all, unit);
        all.add(new Question("reach " + unit, x -> x.reach(unit)));
        for (int cell = 0; cell < 63; cell += 2) {
            int c = cell;
            all.add(new Question("cost " + unit + " " + cell, x -> x.cost(unit, c)));
            all.add(new Question("way " + unit + " " + (cell + 1), x -> x.way(unit, Math.min(62, c + 1), 1)));
        }
    }

    private static void addText(List<Question> all) {
        for (int i = 0; i < 69; i++) {
            int place = i;
            all.add(new Question("text " + i, x -> x.text(place)));
        }
    }

    private static void addReport(List<Question> all) {
        for (int level = 0; level < 4; level++) {
            int l = level;
            all.add(new Question("code " + level, x -> x.report(l, 0)));
            all.add(new Question("detail " + level, x -> x.report(l, 1)));
        }
    }

    static List<String> of(Played played) {
        List<String> lines = game(played);
        lines.addAll(report(played));
        lines.addAll(past(played));
        lines.addAll(input(played));
        return lines;
    }

    /** All but the input buffer. */
    static List<String> butInput(Played played) {
        List<String> lines = game(played);
        lines.addAll(report(played));
        lines.addAll(past(played));
        return lines;
    }

    /** All but the report. */
    static List<String> butReport(Played played) {
        List<String> lines = game(played);
        lines.addAll(past(played));
        lines.addAll(input(played));
        return lines;
    }

    private static List<String> input(Played played) {
        List<String> lines = new ArrayList<>();
        kept(lines, "fed", played, x -> x.feed('x'));
        kept(lines, "read", played, HexCampaign::readMap);
        return lines;
    }

    /** What can be taken back, and what was saved. */
    private static List<String> past(Played played) {
        List<String> lines = new ArrayList<>();
        for (int undone = 1; undone <= MOST_UNDONE; undone++) {
            String answer = kept(lines, "undone " + undone, played, undoing(undone));
            if (answer.endsWith("Exception")) {
                break;
            }
        }
        kept(lines, "restored", played, HexCampaign::restore);
        return lines;
    }

    /** What is saved and taken back. */
    static List<String> game(Played played) {
        List<String> lines = new ArrayList<>();
        ask(lines, "", played, QUESTIONS, x -> null);
        kept(lines, "turn ended", played, HexCampaign::endTurn);
        kept(lines, "added", played, Sight::addAnywhere);
        kept(lines, "weather", played, Sight::weathers);
        return lines;
    }

    /** The report alone. */
    static List<String> report(Played played) {
        List<Question> parts = new ArrayList<>();
        addReport(parts);
        List<String> lines = new ArrayList<>();
        ask(lines, "", played, parts, x -> null);
        return lines;
    }

    /** Asks campaigns after the calls of the played one, and one call more. */
    private static void ask(List<String> lines, String where, Played played, List<Question> asked,
            Function<HexCampaign, Object> change) {
        HexCampaign x = null;
        int left = 0;
        for (Question q : asked) {
            if (left == 0) {
                x = played.again();
                change.apply(x);
                left = Played.MOST_CALLS - SPARE - played.calls();
                if (left < 1) {
                    throw new AssertionError("no call is left to look at the state");
                }
            }
            lines.add(where + q.line(x));
            left--;
        }
    }

    /** Adds what a change answers, and what can be seen after it. */
    private static String kept(List<String> lines, String name, Played played,
            Function<HexCampaign, Object> change) {
        String answer = new Question(name, change).line(played.again());
        lines.add(answer);
        if (!answer.endsWith("Exception")) {
            ask(lines, name + ", ", played, SHORT, change);
        }
        return answer;
    }

    private static Function<HexCampaign, Object> undoing(int times) {
        return x -> {
            int left = 0;
            for (int i = 0; i < times; i++) {
                left = x.undo();
            }
            return left;
        };
    }

    /** The number of the next unit, wherever there is a cell for it. */
    private static Object addAnywhere(HexCampaign x) {
        for (int cell = 0; cell < 9; cell++) {
            try {
                return x.add(0, cell, 1, 1);
            } catch (IllegalStateException e) {
                continue;
            }
        }
        return "none";
    }

    private static Object weathers(HexCampaign x) {
        StringBuilder all = new StringBuilder();
        for (int i = 0; i < ROUNDS; i++) {
            x.endTurn();
            x.endTurn();
            all.append(x.count(3));
        }
        return all;
    }
}
