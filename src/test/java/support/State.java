/** All of an object's state that calls can tell without a change, as one text. */
final class State {
    private State() {
    }

    /** Some 150 calls. */
    static String of(LongBoats x) {
        StringBuilder s = new StringBuilder();
        for (int what = 0; what <= 11; what++) {
            s.append(x.count(what)).append(' ');
        }
        s.append("fault ").append(x.fault(0)).append(' ').append(x.fault(1));
        for (int boat = 0; boat < x.count(0); boat++) {
            s.append(" boat ").append(x.boat(boat, 0)).append(' ').append(x.boat(boat, 1));
        }
        for (int man = 0; man < x.count(1); man++) {
            s.append(" man");
            for (int what = 0; what <= 5; what++) {
                s.append(' ').append(x.man(man, what));
            }
        }
        for (int team = 0; team < x.count(2); team++) {
            s.append(" team");
            for (int i = -2; i < 5; i++) {
                s.append(' ').append(x.team(team, i));
            }
        }
        for (int slot = 0; slot <= 3; slot++) {
            s.append(" slot ").append(x.gaps(slot)).append(' ').append(x.odd(slot));
        }
        return s.toString();
    }
}
