import java.util.ArrayList;
import java.util.List;

/** All that can be seen of a station: what every asking method answers, and the price and the biases it was told. */
final class Seen {
    private static final int[] WARMTHS = {0, 4, 25, 40};
    private static final List<String> REFUSALS =
        List.of(Checks.INDEX.getName(), Checks.ARGUMENT.getName(), Checks.STATE.getName());

    // What was seen last, because many calls in a row are tried on one station.
    private static Station lastStation = null;
    private static int lastChangeCount = 0;
    private static Seen lastSeen = null;
    private static List<String> lastAnswers = null;

    interface Question {
        Object to(Station station);
    }

    private final List<String> names = new ArrayList<>();
    private final List<Question> questions = new ArrayList<>();

    private Seen(Station station) {
        Station counts = station.twin();
        int farms = counts.many(1);
        int baskets = counts.many(2);
        int beds = counts.many(3);
        int lots = counts.many(4);
        addOfAll();
        // One more of each is asked for, too: that it is not there is to be seen as well.
        for (int i = 0; i <= farms; i++) {
            addOf("ofFarm", i, 4, Station::ofFarm);
        }
        for (int i = 0; i <= baskets; i++) {
            addOf("ofBasket", i, 5, Station::ofBasket);
        }
        for (int i = 0; i <= 2; i++) {
            addOf("ofTank", i, 4, Station::ofTank);
            addOfWarmths("readyIn", i, Station::readyIn);
        }
        for (int i = 0; i <= beds; i++) {
            addOf("ofBed", i, 7, Station::ofBed);
            addOfWarmths("dryIn", i, Station::dryIn);
        }
        for (int i = 0; i <= lots; i++) {
            addOf("ofLot", i, 11, Station::ofLot);
            addOf("kilosOf", i, farms, Station::kilosOf);
            addShares(i, farms);
        }
        addTold();
    }

    private interface Of {
        int ask(Station station, int row, int what);
    }

    private void add(String name, Question question) {
        names.add(name);
        questions.add(question);
    }

    private void addOfAll() {
        for (int i = 0; i <= 15; i++) {
            int what = i;
            add("many(" + what + ")", s -> s.many(what));
        }
        add("meanScore()", Station::meanScore);
        add("bestBlend()", Station::bestBlend);
        add("digest()", Station::digest);
    }

    private void addOf(String name, int row, int last, Of of) {
        for (int i = 0; i <= last; i++) {
            int what = i;
            add(name + "(" + row + ", " + what + ")", s -> of.ask(s, row, what));
        }
    }

    private void addOfWarmths(String name, int row, Of of) {
        for (int warmth : WARMTHS) {
            add(name + "(" + row + ", " + warmth + ")", s -> of.ask(s, row, warmth));
        }
    }

    private void addShares(int lot, int farms) {
        for (int i = 0; i < farms; i++) {
            int farm = i;
            add("wouldShare(" + lot + ", " + farm + ", 7, true)", s -> s.wouldShare(lot, farm, 7, true));
        }
    }

    /** No method asks for these; but telling answers what was told before. They are last, as they change the twin. */
    private void addTold() {
        add("the price", s -> s.price(1));
        for (int i = 0; i <= 2; i++) {
            int taster = i;
            add("the bias of " + taster, s -> s.bias(taster, 0));
        }
    }

    /** Each question with its answer, on twins of the station, on which the call is made first (null: none). */
    private List<String> answers(Station station, Checks.Call call) {
        Asker asker = new Asker(station, call);
        List<String> answers = new ArrayList<>();
        for (int i = 0; i < questions.size(); i++) {
            Question question = questions.get(i);
            String[] answer = {null};
            String outcome = Checks.outcome(asker.next(), s -> answer[0] = question.to(s).toString());
            if (answer[0] == null && !REFUSALS.contains(outcome)) {
                Checks.complain(names.get(i) + " threw " + outcome);
            }
            answers.add(names.get(i) + " = " + (answer[0] == null ? outcome : answer[0]));
        }
        return answers;
    }

    /** What differs once the call was made on the station: empty, if nothing has changed. */
    static List<String> changedBy(Station station, Checks.Call call) {
        if (station != lastStation || station.changeCount() != lastChangeCount) {
            lastStation = station;
            lastChangeCount = station.changeCount();
            lastSeen = new Seen(station);
            lastAnswers = lastSeen.answers(station, null);
        }
        List<String> after = lastSeen.answers(station, call);
        List<String> changed = new ArrayList<>();
        for (int i = 0; i < after.size(); i++) {
            if (!after.get(i).equals(lastAnswers.get(i))) {
                changed.add(after.get(i) + ", before it was " + lastAnswers.get(i));
            }
        }
        return changed;
    }
}
