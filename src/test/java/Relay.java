/** Asks more about one pattern than one object may be asked: when the calls of one end, a new one goes on. */
final class Relay {
    private final String before;
    private final String pattern;
    private House house;

    /** The pattern is laid out where another one was before it, so that what is left of that one would be seen. */
    Relay(String before, String pattern) {
        this.before = before;
        this.pattern = pattern;
    }

    Relay(String pattern) {
        this("", pattern);
    }

    House now() {
        if (house == null || house.callsLeft() == 0) {
            house = new House();
            Check.readAll(house, before);
            house.states();
            house.read();
            Check.readAll(house, pattern);
        }
        return house;
    }
}
