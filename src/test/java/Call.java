import java.util.Arrays;
import java.util.stream.Collectors;

/** One call of the face by its name, so that it can be made on several objects and be printed. */
record Call(String name, long... args) {
    long on(RiverDown x) {
        switch (name) {
            case "place": return x.place(at(0));
            case "set": return x.set(at(0), at(1), at(2));
            case "doing": return x.doing(at(0), at(1));
            case "told": return x.told(at(0), at(1), at(2));
            case "feed": return x.feed(at(0), args[1]);
            case "text": return x.text();
            case "force": return x.force(at(0));
            case "worth": return x.worth();
            case "parts": return x.parts(at(0), at(1), at(2));
            case "mean": return x.mean(at(0));
            case "takes": return x.takes(at(0), at(1));
            case "odds": return x.odds(at(0), at(1));
            case "drawn": return x.drawn(at(0), at(1));
            case "judge": return x.judge(at(0));
            case "value": return x.value(at(0), at(1));
            default: return moreOn(x);
        }
    }

    private long moreOn(RiverDown x) {
        switch (name) {
            case "best": return x.best(at(0), at(1));
            case "look": return x.look(at(0));
            case "rises": return x.rises(at(0));
            case "more": return x.more(at(0));
            case "worst": return x.worst();
            case "last": return x.last();
            case "image": return x.image();
            case "back": return x.back();
            case "count": return x.count(at(0));
            case "sheet": return x.sheet(at(0), at(1), at(2));
            case "cell": return x.cell(at(0), at(1), at(2));
            case "copy": return x.copy(at(0), at(1), at(2), at(3), at(4));
            case "places": return x.places(at(0), at(1), at(2), at(3));
            case "taken": return x.taken(at(0), at(1));
            default: throw new IllegalArgumentException("no such call: " + name);
        }
    }

    private int at(int i) {
        return Math.toIntExact(args[i]);
    }

    @Override
    public String toString() {
        return Arrays.stream(args).mapToObj(Long::toString).collect(Collectors.joining(", ", name + "(", ")"));
    }
}
