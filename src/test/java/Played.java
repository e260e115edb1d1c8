import java.util.ArrayList;
import java.util.List;
import java.util.function.Function;

/**
 * A campaign that notes its calls, so that other ones can be brought to its state. Nothing is
 * promised of an object after its 512th call: a test that makes more of them is wrong itself.
 */
final class Played {
    static final int MOST_CALLS = 512;
    private final HexCampaign campaign = new HexCampaign();
    private final List<Function<HexCampaign, Object>> calls = new ArrayList<>();
    private List<String> sight;
    private int sightAfter = -1;

    private <T> T call(Function<HexCampaign, T> asked) {
        if (calls.size() >= MOST_CALLS) {
            throw new AssertionError("the test makes more than " + MOST_CALLS + " calls of one object");
        }
        calls.add(asked::apply);
        return asked.apply(campaign);
    }

    int calls() {
        return calls.size();
    }

    /** A new campaign after the same calls; those that were refused are refused again. */
    HexCampaign again() {
        HexCampaign twin = new HexCampaign();
        for (Function<HexCampaign, Object> asked : calls) {
            try {
                asked.apply(twin);
            } catch (RuntimeException e) {
                continue;
            }
        }
        return twin;
    }

    /** What can be seen after the calls so far. */
    List<String> sight() {
        if (sightAfter != calls.size()) {
            sight = Sight.of(this);
            sightAfter = calls.size();
        }
        return sight;
    }

    int start(int seed) {
        return call(x -> x.start(seed));
    }

    int setTerrain(int cell, int terrain, boolean hasRoad) {
        return call(x -> x.setTerrain(cell, terrain, hasRoad));
    }

    boolean setSource(int cell, int side, boolean isSource) {
        return call(x -> x.setSource(cell, side, isSource));
    }

    int set(boolean isWeather, int value) {
        return call(x -> x.set(isWeather, value));
    }

    int cell(int cell, int what) {
        return call(x -> x.cell(cell, what));
    }

    int neighbor(int cell, int direction) {
        return call(x -> x.neighbor(cell, direction));
    }

    int distance(int one, int other) {
        return call(x -> x.distance(one, other));
    }

    int count(int what) {
        return call(x -> x.count(what));
    }

    int add(int side, int cell, int strength, int movement) {
        return call(x -> x.add(side, cell, strength, movement));
    }

    int unit(int unit, int what) {
        return call(x -> x.unit(unit, what));
    }

    int known(int side) {
        return call(x -> x.known(side));
    }

    long cells(int side, int what) {
        return call(x -> x.cells(side, what));
    }

    boolean isSeen(int from, int cell) {
        return call(x -> x.isSeen(from, cell));
    }

    int supplyCost(int side, int cell) {
        return call(x -> x.supplyCost(side, cell));
    }

    long reach(int unit) {
        return call(x -> x.reach(unit));
    }

    int cost(int unit, int cell) {
        return call(x -> x.cost(unit, cell));
    }

    int way(int unit, int cell, int i) {
        return call(x -> x.way(unit, cell, i));
    }

    int move(int unit, int cell) {
        return call(x -> x.move(unit, cell));
    }

    int odds(int from, int to, boolean isDefense) {
        return call(x -> x.odds(from, to, isDefense));
    }

    int attack(int from, int to) {
        return call(x -> x.attack(from, to));
    }

    int endTurn() {
        return call(HexCampaign::endTurn);
    }

    int account(int side, int what) {
        return call(x -> x.account(side, what));
    }

    double balance() {
        return call(HexCampaign::balance);
    }

    int report(int level, int what) {
        return call(x -> x.report(level, what));
    }

    int feed(char letter) {
        return call(x -> x.feed(letter));
    }

    int readMap() {
        return call(HexCampaign::readMap);
    }

    char text(int i) {
        return call(x -> x.text(i));
    }

    int undo() {
        return call(HexCampaign::undo);
    }

    int save() {
        return call(HexCampaign::save);
    }

    int restore() {
        return call(HexCampaign::restore);
    }
}
