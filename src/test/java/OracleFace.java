/** Calls by name, of the program and of the oracle; a boolean counts 1 or 0. */
final class OracleFace {
    private OracleFace() { }

    static long ask(VolcanoWatch x, String name, int[] a) {
        switch (name) {
            case "feed": return x.feed(a[0], a[1], a[2], a[3], a[4]);
            case "rules": return x.rules(a[0]);
            case "fault": return x.fault(a[0]);
            case "hours": return x.hours(a[0]);
            case "post": return x.post(a[0]);
            case "read": return x.read(a[0], a[1], a[2], (a[3] & 1) == 1);
            case "reading": return x.reading(a[0], a[1], a[2]);
            case "raw": return x.raw(a[0], a[1]);
            case "tries": return x.tries(a[0], a[1], a[2]);
            case "level": return x.level(a[0]);
            case "land": return x.land(a[0], a[1]) ? 1 : 0;
            case "ground": return x.ground(a[0], a[1], a[2]) ? 1 : 0;
            case "work": return x.work(a[0], (a[1] & 1) == 1, (a[2] & 1) == 1) ? 1 : 0;
            case "world": return x.world(a[0], a[1], a[2], a[3], a[4]);
            case "lava": return x.lava(a[0], a[1], a[2], a[3]);
            case "reached": return x.reached(a[0], a[1]);
            case "town": return x.town(a[0], a[1], a[2], a[3]);
            case "shelter": return x.shelter(a[0]);
            case "road": return x.road(a[0], a[1], a[2], a[3], a[4], a[5]);
            case "warned": return x.warned(a[0]);
            case "ledOut": return x.ledOut(a[0], a[1]);
            case "cut": return x.cut(a[0], a[1], a[2]);
            case "cost": return x.cost(a[0]);
            case "candidate": return x.candidate(a[0]);
            case "best": return x.best(a[0], a[1]);
            case "wind": return x.wind(a[0], a[1], a[2]) ? 1 : 0;
            case "ash": return x.ash(a[0], a[1]);
            case "look": return x.look(a[0], a[1]);
            case "count": return x.count(a[0]);
            default: throw new IllegalArgumentException(name);
        }
    }

    static long ask(Oracle x, String name, int[] a) {
        switch (name) {
            case "feed": return x.feed(a[0], a[1], a[2], a[3], a[4]);
            case "rules": return x.rules(a[0]);
            case "fault": return x.fault(a[0]);
            case "hours": return x.hours(a[0]);
            case "post": return x.post(a[0]);
            case "read": return x.read(a[0], a[1], a[2], (a[3] & 1) == 1);
            case "reading": return x.reading(a[0], a[1], a[2]);
            case "raw": return x.raw(a[0], a[1]);
            case "tries": return x.tries(a[0], a[1], a[2]);
            case "level": return x.level(a[0]);
            case "land": return x.land(a[0], a[1]) ? 1 : 0;
            case "ground": return x.ground(a[0], a[1], a[2]) ? 1 : 0;
            case "work": return x.work(a[0], (a[1] & 1) == 1, (a[2] & 1) == 1) ? 1 : 0;
            case "world": return x.world(a[0], a[1], a[2], a[3], a[4]);
            case "lava": return x.lava(a[0], a[1], a[2], a[3]);
            case "reached": return x.reached(a[0], a[1]);
            case "town": return x.town(a[0], a[1], a[2], a[3]);
            case "shelter": return x.shelter(a[0]);
            case "road": return x.road(a[0], a[1], a[2], a[3], a[4], a[5]);
            case "warned": return x.warned(a[0]);
            case "ledOut": return x.ledOut(a[0], a[1]);
            case "cut": return x.cut(a[0], a[1], a[2]);
            case "cost": return x.cost(a[0]);
            case "candidate": return x.candidate(a[0]);
            case "best": return x.best(a[0], a[1]);
            case "wind": return x.wind(a[0], a[1], a[2]) ? 1 : 0;
            case "ash": return x.ash(a[0], a[1]);
            case "look": return x.look(a[0], a[1]);
            case "count": return x.count(a[0]);
            default: throw new IllegalArgumentException(name);
        }
    }
}
